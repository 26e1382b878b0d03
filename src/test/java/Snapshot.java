/** All that an object answers (but what was printed), as one text. */
final class Snapshot {
    private Snapshot() {
    }

    static String of(OwnText x) {
        StringBuilder s = new StringBuilder();
        for (int what = 0; what <= 6; what++) {
            s.append(x.count(what)).append(' ');
        }
        for (int i = 0; i < x.count(0); i++) {
            s.append('\n').append(i).append(':');
            for (int what = 0; what <= 6; what++) {
                s.append(' ').append(x.event(i, what));
            }
            for (int k = 0; k < x.event(i, 1); k++) {
                for (int what = 0; what <= 3; what++) {
                    s.append(what == 0 ? " p" : ",").append(x.pitch(i, k, what));
                }
            }
            for (int verse = 1; verse <= 3; verse++) {
                s.append(" w").append(Check.syllable(x, i, verse));
            }
            s.append(" at ").append(x.walk(i));
        }
        int bars = Math.min(x.count(6), 60);
        for (int b = 0; b < bars; b++) {
            s.append("\nbar");
            for (int what = 0; what <= 3; what++) {
                s.append(' ').append(x.bar(b, what));
            }
        }
        return s.toString();
    }
}
