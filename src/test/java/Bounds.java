/** What the tests of the document's boundary cases share. */
abstract class Bounds {
    static final int NONE = BlackMill.NONE;
    static final int HIDDEN = BlackMill.HIDDEN;

    private final Doc doc;

    Bounds(Doc doc) {
        this.doc = doc;
    }

    final void in(String section) {
        doc.in(section);
    }

    final void says(String words) {
        doc.says(words);
    }

    final void due(String what, long got, long want) {
        doc.due(what, got, want);
    }

    final void due(String what, boolean got, boolean want) {
        doc.due(what, got ? 1 : 0, want ? 1 : 0);
    }

    /** What was refused, as five digits. */
    static long refused(BlackMill mill) {
        long digits = 0;
        for (int what = 0; what < 5; what++) {
            digits = digits * 10 + mill.status(what);
        }
        return digits;
    }
}
