/** Everything that an index tells about its state, as a text; taking it uses the index up. */
final class Picture {
    // An index may be asked 512 calls in all, so that of each list only the first ones are told.
    private static final int MOST = 8;

    private final LearnedIndex x;
    private final StringBuilder text = new StringBuilder();

    private Picture(LearnedIndex x) {
        this.x = x;
    }

    /** Input buffer and snapshot show only in what is loaded and restored. */
    static String of(LearnedIndex x) {
        Picture picture = new Picture(x);
        picture.tellAll();
        picture.tell("load", Checks.outcome(x::load));
        picture.tellAll();
        picture.tell("restore", Checks.outcome(x::restore));
        picture.tellAll();
        return picture.text.toString();
    }

    private void tell(String what, Object answer) {
        text.append(what).append(' ').append(answer).append('\n');
    }

    private void tellAll() {
        for (int what = 0; what < 10; what++) {
            tell("count", x.count(what));
        }
        tell("sum", x.sum(0, 9999));
        tellEntries();
        tellChanges();
        tellSegments();
        tellSettings();
    }

    private void tellEntries() {
        int entries = Math.min(MOST, x.count(0));
        for (int rank = 0; rank < entries; rank++) {
            int key = x.keyAt(rank);
            tell("entry " + key, x.sum(key, key));
        }
        int positions = Math.min(MOST, x.count(1));
        for (int p = 0; p < positions; p++) {
            tell("main " + x.main(p, false), x.main(p, true));
        }
    }

    private void tellChanges() {
        int changes = Math.min(MOST, x.count(2));
        for (int i = 0; i < changes; i++) {
            for (int what = 0; what < 3; what++) {
                tell("change", x.change(i, what));
            }
        }
    }

    private void tellSegments() {
        int segments = Math.min(MOST, x.count(4));
        for (int i = 0; i < segments; i++) {
            for (int what = 0; what < 5; what++) {
                tell("segment", x.segment(i, what));
            }
        }
    }

    /** A setting is told by setting it, and set back; the capacity goes up first, so that nothing is merged. */
    private void tellSettings() {
        int[] greatest = {8, 20, 16, 9};
        for (int what = 0; what < greatest.length; what++) {
            int value = x.set(what, greatest[what]);
            x.set(what, value);
            tell("setting", value);
        }
    }
}
