/** Makes the objects that the tests begin with. */
final class Make {
    private Make() {
    }

    static SqueezedLines withPages(int pages) {
        SqueezedLines x = new SqueezedLines();
        for (int i = 0; i < pages; i++) {
            x.newPage();
        }
        return x;
    }

    /** Gives the lines from first to last the form 4 (raw). */
    static void rawLines(SqueezedLines x, int page, int first, int last) {
        for (int line = first; line <= last; line++) {
            x.write(page, line, 0, 1000);
        }
    }

    /** Gives the lines from first to last the form 1 (same). */
    static void sameLines(SqueezedLines x, int page, int first, int last) {
        for (int line = first; line <= last; line++) {
            x.fill(page, line, 7);
        }
    }

    static void typeAll(SqueezedLines x, String text) {
        for (int i = 0; i < text.length(); i++) {
            x.type(text.charAt(i));
        }
    }

    /** A page whose slots are too large: it was full of raw lines, now it has zeros. */
    static SqueezedLines withLoosePage() {
        SqueezedLines x = withPages(1);
        rawLines(x, 0, 0, 7);
        for (int line = 0; line < 8; line++) {
            x.fill(0, line, 0);
        }
        return x;
    }

    /** Gives a line words of a form; the form 4 takes two calls, as do 2 and 3. */
    static void line(SqueezedLines x, int page, int line, int form) {
        int[] values = {0, 7, 12, 200, 1000};
        if (form < 2) {
            x.fill(page, line, values[form]);
        } else {
            x.fill(page, line, 0);
            x.write(page, line, 0, values[form]);
        }
    }

    /** One page of zeros with this slot size, and room for all lines beside. */
    static SqueezedLines withSlot(int slot) {
        SqueezedLines x = withPages(1);
        x.setRoom(0);
        int[] formOfSlot = {0, 1, -1, 2, 3, -1, -1, -1, 4};
        line(x, 0, 0, formOfSlot[slot]);
        x.setRoom(8);
        x.fill(0, 0, 0);
        return x;
    }

    /**
     * The pages 0, 1, 2 and 4 with lines of all forms (page 1 is loose), hints in use, six saved states of which no two
     * are the same, and a text that is a line list.
     */
    static SqueezedLines lived() {
        SqueezedLines x = withPages(5);
        rawLines(x, 1, 0, 3);
        for (int line = 0; line < 3; line++) {
            x.fill(1, line, 0);
        }
        line(x, 0, 1, 2);
        line(x, 0, 2, 3);
        x.look(0, 1, 0);
        x.look(0, 1, 0);
        x.look(4, 0, 0);
        x.free(3);
        x.look(1, 0, 0);
        x.fill(0, 3, 9);
        typeAll(x, "0:0=9*;1:1=8*");
        return x;
    }

    /** Four pages whose sizes have the sum 20, which is the bound; page 0 has two raw lines beside. */
    static SqueezedLines atBound() {
        SqueezedLines x = withPages(4);
        rawLines(x, 0, 0, 1);
        x.setBound(20);
        return x;
    }

    /** Two pages with three raw lines beside each, so with sizes of 25, and the bound 20. */
    static SqueezedLines aboveBound() {
        SqueezedLines x = withPages(2);
        rawLines(x, 0, 0, 2);
        rawLines(x, 1, 0, 2);
        x.setBound(20);
        return x;
    }
}
