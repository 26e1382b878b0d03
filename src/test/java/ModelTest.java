import java.util.Random;

/** All promises: OwnText and the Model answer alike, for many texts on the same objects. */
public final class ModelTest {
    private static final int OBJECTS = 3000;
    private static final int TEXTS = 12;

    private static final int[] kinds = new int[9];
    private static final int[] used = new int[7];

    public static void main(String[] args) {
        int objects = args.length > 0 ? Integer.parseInt(args[0]) : OBJECTS;
        int seed = args.length > 1 ? Integer.parseInt(args[1]) : 1;
        Texts texts = new Texts(seed);
        Random random = new Random(seed);
        for (int n = 0; n < objects; n++) {
            oneObject(texts, random);
        }
        for (int kind = 0; kind < kinds.length; kind++) {
            System.out.println("kind " + kind + ": " + kinds[kind] + " texts");
            Check.same("some texts of kind " + kind, kinds[kind] > 0 ? 1 : 0, 1);
        }
        for (int what = 0; what < used.length; what++) {
            Check.same("some texts with " + what, used[what] > 0 ? 1 : 0, 1);
        }
        Check.done();
    }

    private static void oneObject(Texts texts, Random random) {
        OwnText x = new OwnText();
        Model model = new Model("");
        int kind = 0;
        for (int n = 0; n < TEXTS; n++) {
            String text = texts.next();
            Check.feed(x, text);
            int due;
            try {
                model = new Model(text);
                due = model.size();
                kinds[0]++;
            } catch (Model.Trouble e) {
                kind = e.kind;
                due = -1000 - e.place;
                kinds[kind]++;
            }
            Check.same("read of " + text, x.read(), due);
            Check.same("fault of " + text, x.fault(), kind);
            Check.same("answers of " + text, Snapshot.of(x), model.snapshot());
            Check.same("form of " + text, Check.normalForm(x), model.normalForm());
            for (int k = 0; k < 5; k++) {
                int voice = random.nextInt(x.count(1));
                int up = random.nextInt(40) - 1;
                int down = 1 + random.nextInt(12);
                Check.same("at of " + text, x.at(voice, up, down), model.at(voice, up, down));
            }
            for (int what = 0; what < used.length; what++) {
                used[what] += x.count(what) > 1 ? 1 : 0;
            }
        }
    }
}
