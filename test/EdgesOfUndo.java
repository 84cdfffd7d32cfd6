import java.math.BigInteger;
import java.util.ArrayList;
import java.util.List;

/** The sentences of the promises 28 and 29: undo and digest. */
final class EdgesOfUndo {
    private final Edges edges;

    EdgesOfUndo(Edges edges) {
        this.edges = edges;
    }

    void run() {
        edges.of(28, "Restores the state that was saved last,", this::restores);
        edges.of(28, "and discards it from the saved states.", this::discards);
        edges.of(28, "the number of saved states that are left;", this::numberLeft);
        edges.of(28, "NOT_POSSIBLE if no state is saved", this::noneSaved);
        edges.of(29, "Computes a hash of the state.", this::hashOfTheState);
        edges.of(29, "The hash starts at 432.", this::hashOfNewObject);
        edges.of(29, "For each value v of the following list, in order, the hash becomes 31 * hash + v,", this::hashOfFewValues);
        edges.of(29, "in long arithmetic with overflow.", this::overflow);
        edges.of(29, "The list is: count(0) to count(8); for each page its number and its numbers 0 to 4, and for each line its form"
                + " and all its words; lines(0) to lines(4); for each hint its numbers 0 and 1; loosest(); rawPagesLeft().",
                this::hashOfAll);
        edges.of(29, "the hash.", () -> edges.changesNothing("digest()", Make::lived, SqueezedLines::digest));
    }

    // ---- promise 28

    private void restores() {
        SqueezedLines x = Make.withPages(1);
        long[] digests = new long[7];
        for (int i = 0; i < 7; i++) {
            digests[i] = x.digest();
            x.write(0, i, i, 1000 + i);
        }
        for (int i = 6; i >= 1; i--) {
            x.undo();
            edges.due("digest() after undo() of the write into line " + i, x.digest(), digests[i]);
        }
        edges.due("peek(0, 0, 0): the write of the discarded state", x.peek(0, 0, 0), 1000);
        SqueezedLines above = Make.aboveBound();
        above.free(0);
        edges.due("count(1)", above.count(1), 25);
        above.undo();
        edges.due("count(1): also a sum above the bound is restored", above.count(1), 50);
        SqueezedLines bound = Make.withPages(1);
        bound.setBound(20);
        bound.undo();
        edges.due("count(2): the bound is restored", bound.count(2), 300);
    }

    private void discards() {
        SqueezedLines x = new SqueezedLines();
        x.newPage();
        x.newPage();
        x.newPage();
        x.undo();
        edges.due("count(0)", x.count(0), 2);
        x.undo();
        edges.due("count(0): undo() again goes further back", x.count(0), 1);
        x.newPage();
        x.undo();
        edges.due("count(0)", x.count(0), 1);
        x.undo();
        edges.due("count(0)", x.count(0), 0);
        edges.due("undo()", x.undo(), Edges.NOT_POSSIBLE);
    }

    private void numberLeft() {
        SqueezedLines x = new SqueezedLines();
        for (int i = 0; i < 9; i++) {
            x.newPage();
            edges.due("undo() after newPage()", x.undo(), Math.min(i, 5));
            x.newPage();
        }
        for (int left = 5; left >= 0; left--) {
            edges.due("undo()", x.undo(), left);
        }
    }

    private void noneSaved() {
        edges.refused("undo() of a new object", SqueezedLines::new, SqueezedLines::undo, Edges.NOT_POSSIBLE);
        edges.refused("undo() after refused calls", () -> {
            SqueezedLines x = new SqueezedLines();
            x.setRoom(9);
            x.setBound(19);
            x.free(0);
            x.readLines();
            return x;
        }, SqueezedLines::undo, Edges.NOT_POSSIBLE);
        edges.refused("undo() of a text", () -> {
            SqueezedLines x = new SqueezedLines();
            Make.typeAll(x, "0:0=1*");
            return x;
        }, SqueezedLines::undo, Edges.NOT_POSSIBLE);
        edges.refused("undo() for the seventh time", () -> {
            SqueezedLines x = Make.withPages(10);
            for (int i = 0; i < 6; i++) {
                x.undo();
            }
            return x;
        }, SqueezedLines::undo, Edges.NOT_POSSIBLE);
        SqueezedLines x = new SqueezedLines();
        x.undo();
        x.newPage();
        edges.due("undo() of the first state after a refused one", x.undo(), 0);
    }

    // ---- promise 29

    private void hashOfTheState() {
        SqueezedLines x = Make.lived();
        long before = x.digest();
        edges.due("digest() again", x.digest(), before);
        edges.due("digest() of another object in the same state", Make.lived().digest(), before);
        x.clearText();
        edges.due("digest(): the text is not of the state", x.digest(), before);
        x.setBound(x.count(2));
        edges.due("digest(): the saved states are not of the state", x.digest(), before);
        for (int line = 0; line < 8; line += 7) {
            for (int word = 0; word < 8; word += 7) {
                SqueezedLines y = Make.lived();
                y.write(4, line, word, 1);
                edges.due("digest() is another one with another word", y.digest() == before ? 1 : 0, 0);
            }
        }
    }

    private static long hash(List<Long> values) {
        BigInteger hash = BigInteger.valueOf(432);
        for (long value : values) {
            hash = hash.multiply(BigInteger.valueOf(31)).add(BigInteger.valueOf(value));
        }
        return hash.longValue();
    }

    private static void addAll(List<Long> values, long... more) {
        for (long value : more) {
            values.add(value);
        }
    }

    private void hashOfNewObject() {
        List<Long> values = new ArrayList<>();
        addAll(values, 0, 0, 300, 3, 0, 0, 0, 0, 0, 0, 0, 0, 0, 0, -6, -6, -6, -6, -6, -6, -6, -6, -6, 4);
        edges.due("digest()", new SqueezedLines().digest(), hash(values));
    }

    /** Page 0 is zeros but for the last word of its last line; the hint 0 has it. */
    private void hashOfFewValues() {
        SqueezedLines x = Make.withPages(1);
        x.write(0, 7, 7, 65535);
        x.look(0, 7, 7);
        List<Long> values = new ArrayList<>();
        addAll(values, 1, 9, 300, 3, 1, 0, 1, 2, 0);
        addAll(values, 0, 0, 9, 128, 0, 9);
        for (int i = 0; i < 7 * 9; i++) {
            values.add(0L);
        }
        addAll(values, 4, 0, 0, 0, 0, 0, 0, 0, 65535);
        addAll(values, 7, 0, 0, 0, 1);
        addAll(values, 0, 128, -6, -6, -6, -6, -6, -6);
        addAll(values, -6, 4);
        edges.due("digest()", x.digest(), hash(values));
    }

    /** The values of the list, each page asked of an object of its own, for 512 calls are not enough for ten of them. */
    private static List<Long> valuesOf(Edges.Making making) {
        List<Long> values = new ArrayList<>();
        SqueezedLines x = making.get();
        for (int what = 0; what < 9; what++) {
            values.add((long) x.count(what));
        }
        for (int page = 0; page < 10; page++) {
            SqueezedLines y = making.get();
            if (y.page(page, 0) >= 0) {
                addValuesOfPage(values, y, page);
            }
        }
        for (int form = 0; form < 5; form++) {
            values.add((long) x.lines(form));
        }
        for (int hint = 0; hint < 4; hint++) {
            addAll(values, x.hint(hint, 0), x.hint(hint, 1));
        }
        addAll(values, x.loosest(), x.rawPagesLeft());
        return values;
    }

    private static void addValuesOfPage(List<Long> values, SqueezedLines x, int page) {
        values.add((long) page);
        for (int what = 0; what < 5; what++) {
            values.add((long) x.page(page, what));
        }
        for (int line = 0; line < 8; line++) {
            values.add((long) x.line(page, line, 0));
            for (int word = 0; word < 8; word++) {
                values.add((long) x.peek(page, line, word));
            }
        }
    }

    /** Ten pages of greatest words, far more than a long holds. */
    private static SqueezedLines full() {
        SqueezedLines x = Make.withPages(10);
        x.setBound(999);
        for (int page = 0; page < 10; page++) {
            for (int line = 0; line < 8; line++) {
                x.fill(page, line, 65535);
            }
            x.write(page, 7, page % 8, page);
            x.look(page, 7, 0);
        }
        return x;
    }

    private void overflow() {
        edges.due("digest() of ten full pages", full().digest(), hash(valuesOf(EdgesOfUndo::full)));
    }

    private void hashOfAll() {
        edges.due("digest() without pages", new SqueezedLines().digest(), hash(valuesOf(SqueezedLines::new)));
        edges.due("digest() of one page", Make.withPages(1).digest(), hash(valuesOf(() -> Make.withPages(1))));
        edges.due("digest() of ten pages", Make.withPages(10).digest(), hash(valuesOf(() -> Make.withPages(10))));
        edges.due("digest() without page 3", Make.lived().digest(), hash(valuesOf(Make::lived)));
        edges.due("digest() of a loose page", Make.withLoosePage().digest(), hash(valuesOf(Make::withLoosePage)));
        edges.due("digest() above the bound", Make.aboveBound().digest(), hash(valuesOf(Make::aboveBound)));
    }
}
