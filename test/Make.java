/** Makes the objects that the tests begin with. */
final class Make {
    private Make() {
    }

    static SqueezedLines withPages(int pages) {
        SqueezedLines x = new SqueezedLines();
        for (int i = 0; i < pages; i++) {
            x.newPage();
        }
        return x;
    }

    /** Gives the lines from first to last the form 4 (raw). */
    static void rawLines(SqueezedLines x, int page, int first, int last) {
        for (int line = first; line <= last; line++) {
            x.write(page, line, 0, 1000);
        }
    }

    /** Gives the lines from first to last the form 1 (same). */
    static void sameLines(SqueezedLines x, int page, int first, int last) {
        for (int line = first; line <= last; line++) {
            x.fill(page, line, 7);
        }
    }

    static void typeAll(SqueezedLines x, String text) {
        for (int i = 0; i < text.length(); i++) {
            x.type(text.charAt(i));
        }
    }

    /** A page whose slots are too large: it was full of raw lines, now it has zeros. */
    static SqueezedLines withLoosePage() {
        SqueezedLines x = withPages(1);
        rawLines(x, 0, 0, 7);
        for (int line = 0; line < 8; line++) {
            x.fill(0, line, 0);
        }
        return x;
    }
}
