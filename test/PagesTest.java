/** Promises 4 to 7. */
public final class PagesTest {
    private static final Check check = new Check("PagesTest");

    public static void main(String[] args) {
        numbersOfNewPages();
        newPageWithinBound();
        newPageIsEmpty();
        freeing();
        freeEmptiesItsHintOnly();
        layingAnew();
        layingAllAnew();
        layingAnewWithAnotherRoom();
        bestSlots();
        pagesAreUndone();
        check.end();
    }

    private static void numbersOfNewPages() {
        SqueezedLines x = new SqueezedLines();
        for (int page = 0; page < 10; page++) {
            check.due("newPage()", x.newPage(), page);
        }
        long before = x.digest();
        check.due("newPage() of ten", x.newPage(), -4);
        check.due("digest() after LIMIT", x.digest(), before);
        x.free(7);
        x.free(2);
        check.due("newPage(): the lowest free number", x.newPage(), 2);
        check.due("newPage(): the next free number", x.newPage(), 7);
        check.due("newPage() of ten again", x.newPage(), -4);
        check.due("count(0)", x.count(0), 10);
    }

    private static void newPageWithinBound() {
        SqueezedLines x = Make.withPages(1);
        Make.rawLines(x, 0, 0, 1);
        x.setBound(20);
        check.due("newPage() to 18", x.newPage(), 1);
        check.due("newPage() to 19", x.newPage(), 2);
        check.due("newPage() to the bound", x.newPage(), 3);
        check.due("newPage() above the bound", x.newPage(), -4);
        check.due("count(0)", x.count(0), 4);
        check.due("count(1)", x.count(1), 20);
    }

    private static void newPageIsEmpty() {
        SqueezedLines x = Make.withPages(1);
        Make.rawLines(x, 0, 0, 7);
        x.free(0);
        x.newPage();
        check.due("page(0, 0)", x.page(0, 0), 0);
        check.due("page(0, 1)", x.page(0, 1), 1);
        check.due("page(0, 2)", x.page(0, 2), 0);
        check.due("lines(0)", x.lines(0), 8);
        for (int line = 0; line < 8; line++) {
            check.due("peek(0, " + line + ", 0)", x.peek(0, line, 0), 0);
            check.due("line(0, " + line + ", 0)", x.line(0, line, 0), 0);
        }
    }

    private static void freeing() {
        SqueezedLines x = Make.withPages(3);
        Make.rawLines(x, 1, 0, 2);
        long before = x.digest();
        check.due("free(3)", x.free(3), -1);
        check.due("free(-1)", x.free(-1), -1);
        check.due("free(10)", x.free(10), -1);
        check.due("free(greatest int)", x.free(Integer.MAX_VALUE), -1);
        check.due("free(least int)", x.free(Integer.MIN_VALUE), -1);
        check.due("digest() after NO_SUCH", x.digest(), before);
        check.due("free(1)", x.free(1), 25);
        check.due("count(0)", x.count(0), 2);
        check.due("count(1)", x.count(1), 2);
        check.due("free(1) again", x.free(1), -1);
        check.due("peek(1, 0, 0)", x.peek(1, 0, 0), -1);
        check.due("free(0)", x.free(0), 1);
        check.due("undo()", x.undo(), 5);
        check.due("undo()", x.undo(), 4);
        check.due("digest() after undo of free", x.digest(), before);
    }

    private static void freeEmptiesItsHintOnly() {
        SqueezedLines x = Make.withPages(6);
        x.look(4, 0, 0);
        x.look(1, 0, 0);
        x.free(0);
        check.due("hint(0, 0) has another page", x.hint(0, 0), 4);
        x.free(4);
        check.due("hint(0, 0) of the freed page", x.hint(0, 0), -6);
        check.due("hint(0, 1) of the freed page", x.hint(0, 1), -6);
        check.due("hint(1, 0)", x.hint(1, 0), 1);
        x.newPage();
        x.newPage();
        x.look(4, 0, 0);
        check.due("count(6): a new page of this number is a miss", x.count(6), 3);
        x.undo();
        x.undo();
        x.undo();
        x.undo();
        check.due("hint(0, 0) after undo of free", x.hint(0, 0), 4);
    }

    private static void layingAnew() {
        SqueezedLines x = Make.withLoosePage();
        check.due("page(0, 1) while loose", x.page(0, 1), 65);
        long before = x.digest();
        check.due("layAnew(1)", x.layAnew(1), -1);
        check.due("layAnew(-1)", x.layAnew(-1), -1);
        check.due("layAnew(10)", x.layAnew(10), -1);
        check.due("digest() after NO_SUCH", x.digest(), before);
        long relaid = x.count(8);
        check.due("layAnew(0)", x.layAnew(0), 8);
        check.due("page(0, 0)", x.page(0, 0), 0);
        check.due("page(0, 1)", x.page(0, 1), 1);
        check.due("count(8): a call is not counted", x.count(8), relaid);
        check.due("layAnew(0) again", x.layAnew(0), 0);
        check.due("undo()", x.undo(), 5);
        check.due("undo()", x.undo(), 4);
        check.due("digest() after undo of layAnew", x.digest(), before);
    }

    private static void layingAllAnew() {
        SqueezedLines x = new SqueezedLines();
        check.due("layAllAnew() without pages", x.layAllAnew(), 0);
        check.due("undo(): a state was saved", x.undo(), 0);
        x = Make.withLoosePage();
        x.newPage();
        x.newPage();
        Make.sameLines(x, 1, 0, 2);
        Make.sameLines(x, 2, 0, 0);
        x.setBound(20);
        check.due("count(1) before", x.count(1), 65 + 25 + 9);
        long relaid = x.count(8);
        check.due("layAllAnew()", x.layAllAnew(), 64 + 16);
        check.due("page(0, 0)", x.page(0, 0), 0);
        check.due("page(1, 0): 9 is less than 25", x.page(1, 0), 1);
        check.due("page(2, 0): 9 both ways, the lesser slot", x.page(2, 0), 0);
        check.due("count(1)", x.count(1), 19);
        check.due("count(8)", x.count(8), relaid);
        check.due("undo()", x.undo(), 5);
        check.due("count(1) after undo", x.count(1), 99);
        check.due("layAllAnew() again", x.layAllAnew(), 80);
        check.due("layAllAnew(): nothing to win", x.layAllAnew(), 0);
    }

    /** Two raw lines: with room 0 or 1 the best slot is 8, with more it is 0. */
    private static void layingAnewWithAnotherRoom() {
        SqueezedLines x = Make.withPages(1);
        Make.rawLines(x, 0, 0, 1);
        x.setRoom(1);
        x.layAnew(0);
        check.due("page(0, 0) with room 1", x.page(0, 0), 8);
        check.due("layAllAnew() with room 1", x.layAllAnew(), 0);
        x.setRoom(2);
        check.due("layAnew(0) with room 2", x.layAnew(0), 8);
        check.due("page(0, 0) with room 2", x.page(0, 0), 0);
        x = Make.withPages(1);
        x.setRoom(8);
        Make.rawLines(x, 0, 0, 4);
        check.due("layAnew(0) with room 8", x.layAnew(0), 0);
        check.due("layAllAnew() with room 8", x.layAllAnew(), 0);
        check.due("page(0, 1)", x.page(0, 1), 41);
    }

    /** The same lines with each room: 1 same, 1 near, 2 small, 2 raw, 2 zero. */
    private static void bestSlots() {
        SqueezedLines x = Make.withPages(1);
        x.setRoom(8);
        x.fill(0, 0, 9);
        x.write(0, 1, 0, 9);
        x.write(0, 2, 0, 200);
        x.write(0, 3, 0, 200);
        Make.rawLines(x, 0, 4, 5);
        // Beside with slot 0, 1, 3, 4, 8: 6, 5, 4, 2, 0 lines; sizes: 49, 49, 57, 49, 65.
        int[] slots = {8, 8, 4, 4, 4, 1, 0, 0, 0};
        int[] sizes = {65, 65, 49, 49, 49, 49, 49, 49, 49};
        for (int room = 0; room <= 8; room++) {
            x.setRoom(room);
            check.due("page(0, 3) with room " + room, x.page(0, 3), slots[room]);
            check.due("page(0, 4) with room " + room, x.page(0, 4), sizes[room]);
        }
    }

    private static void pagesAreUndone() {
        SqueezedLines x = Make.withPages(2);
        long before = x.digest();
        x.newPage();
        check.due("undo() of newPage", x.undo(), 2);
        check.due("digest()", x.digest(), before);
        check.due("page(2, 0)", x.page(2, 0), -1);
    }
}
