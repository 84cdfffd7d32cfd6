/** The sentences of the promises 13 to 19: asking. */
final class EdgesOfAsking {
    private final Edges edges;

    EdgesOfAsking(Edges edges) {
        this.edges = edges;
    }

    void run() {
        count();
        peek();
        page();
        line();
        lines();
        hint();
        equalLines();
    }

    private void eight(int part, String argument, String name, Edges.CallOf call) {
        edges.of(part, "`" + argument + "`: 0 to 7", () -> edges.range(name, Make::lived, 0, 7, Edges.NO_SUCH, call));
    }

    private void refused(int part, String words, int code, Edges.Call... calls) {
        edges.of(part, words, () -> {
            for (int i = 0; i < calls.length; i++) {
                edges.refused("call " + i, Make::lived, calls[i], code);
            }
        });
    }

    private void changesNothing(int part, String words, Edges.Call... calls) {
        edges.of(part, words, () -> {
            for (int i = 0; i < calls.length; i++) {
                edges.changesNothing("call " + i, Make::lived, calls[i]);
            }
        });
    }

    private void what(int part, String words, String name, int greatest, Edges.CallOf call) {
        edges.of(part, words, () -> edges.range(name, Make::lived, 0, greatest, Edges.BAD_VALUE, call));
    }

    // ---- promise 13

    private void count() {
        Edges.Call[] calls = new Edges.Call[9];
        for (int what = 0; what < 9; what++) {
            int number = what;
            calls[what] = x -> x.count(number);
        }
        changesNothing(13, "Returns a number of the memory.", calls);
        what(13, "`what`: 0 for", "count", 8, SqueezedLines::count);
        edges.of(13, "the number of pages,", () -> {
            for (int pages = 0; pages <= 10; pages++) {
                edges.due("count(0) with " + pages + " pages", Make.withPages(pages).count(0), pages);
            }
            edges.due("count(0) without page 3", Make.lived().count(0), 4);
        });
        edges.of(13, "1 for the sum of the sizes of all pages,", this::sums);
        edges.of(13, "2 for the bound,", () -> {
            SqueezedLines x = new SqueezedLines();
            edges.due("count(2)", x.count(2), 300);
            x.setBound(20);
            edges.due("count(2)", x.count(2), 20);
            x.setBound(999);
            edges.due("count(2)", x.count(2), 999);
        });
        edges.of(13, "3 for the room,", () -> {
            SqueezedLines x = new SqueezedLines();
            edges.due("count(3)", x.count(3), 3);
            x.setRoom(0);
            edges.due("count(3)", x.count(3), 0);
            x.setRoom(8);
            edges.due("count(3)", x.count(3), 8);
        });
        edges.of(13, "4 for the number of lines that are beside,", this::linesBeside);
        edges.of(13, "5 for hits so far,", () -> {
            SqueezedLines x = Make.withPages(1);
            edges.due("count(5)", x.count(5), 0);
            x.look(0, 0, 0);
            edges.due("count(5) after a miss", x.count(5), 0);
            for (int i = 1; i <= 200; i++) {
                x.look(0, i % 8, 0);
                edges.due("count(5) after " + i + " hits", x.count(5), i);
            }
        });
        edges.of(13, "6 for misses so far,", () -> {
            SqueezedLines x = Make.withPages(5);
            edges.due("count(6)", x.count(6), 0);
            for (int i = 1; i <= 200; i++) {
                x.look(i % 2 * 4, 0, 0);
                edges.due("count(6) after " + i + " misses", x.count(6), i);
            }
        });
        edges.of(13, "7 for the costs of all looks so far,", () -> {
            SqueezedLines x = Make.withPages(5);
            edges.due("count(7)", x.count(7), 0);
            x.look(0, 0, 0);
            edges.due("count(7) after a miss", x.count(7), 2);
            x.look(0, 0, 0);
            edges.due("count(7) after a hit", x.count(7), 3);
            x.look(0, 0, 8);
            edges.due("count(7) after a refused look", x.count(7), 3);
            x.peek(0, 0, 0);
            edges.due("count(7) after peek()", x.count(7), 3);
            x.look(4, 0, 0);
            edges.due("count(7) after a second miss", x.count(7), 5);
        });
        edges.of(13, "8 for how often pages were laid anew so far because too many lines would have been beside"
                + " (by changes of lines and by setRoom())", this::laidAnew);
        refused(13, "the number; BAD_VALUE if what is out of range.", Edges.BAD_VALUE, x -> x.count(9), x -> x.count(-1),
                x -> x.count(100), x -> x.count(-300));
    }

    /** From no page to ten pages of the greatest size, 97. */
    private void sums() {
        edges.due("count(1) without pages", new SqueezedLines().count(1), 0);
        edges.due("count(1) of ten new pages", Make.withPages(10).count(1), 10);
        SqueezedLines x = Make.withPages(10);
        x.setBound(999);
        x.setRoom(0);
        for (int page = 0; page < 10; page++) {
            x.fill(page, 0, 0);
            x.write(page, 0, 0, 200);
        }
        edges.due("count(1) with slot 4 in all pages", x.count(1), 330);
        x.setRoom(8);
        for (int page = 0; page < 10; page++) {
            Make.rawLines(x, page, 0, 7);
            edges.due("count(1) with all lines beside to page " + page, x.count(1), 330 + 64 * (page + 1));
        }
        edges.due("count(1), the greatest sum", x.count(1), 970);
        edges.due("rawPagesLeft()", x.rawPagesLeft(), 0);
        edges.due("layAllAnew()", x.layAllAnew(), 320);
    }

    private void linesBeside() {
        edges.due("count(4) without pages", new SqueezedLines().count(4), 0);
        SqueezedLines x = Make.withPages(10);
        x.setBound(999);
        x.setRoom(8);
        for (int line = 0; line < 80; line++) {
            edges.due("count(4)", x.count(4), line);
            x.fill(line / 8, line % 8, 1);
        }
        edges.due("count(4) with all lines beside", x.count(4), 80);
        x.free(9);
        edges.due("count(4) without page 9", x.count(4), 72);
        x.setRoom(0);
        edges.due("count(4) with room 0", x.count(4), 0);
    }

    private void laidAnew() {
        SqueezedLines x = Make.withPages(3);
        Make.rawLines(x, 0, 0, 2);
        Make.rawLines(x, 1, 0, 2);
        edges.due("count(8) with as many lines beside as the room tells", x.count(8), 0);
        x.fill(2, 0, 1);
        edges.due("count(8)", x.count(8), 0);
        x.write(0, 3, 0, 1000);
        edges.due("count(8) after a change of a line", x.count(8), 1);
        x.layAnew(0);
        x.layAnew(1);
        x.layAllAnew();
        edges.due("count(8) after layAnew() and layAllAnew()", x.count(8), 1);
        x.setRoom(2);
        edges.due("count(8) after setRoom(2), for one page", x.count(8), 2);
        x.undo();
        edges.due("count(8) after undo()", x.count(8), 1);
        x.setRoom(0);
        edges.due("count(8) after setRoom(0), for two pages", x.count(8), 3);
        x.setBound(140);
        x.newPage();
        edges.due("write(3, 0, 0, 1000)", x.write(3, 0, 0, 1000), Edges.LIMIT);
        edges.due("count(8) after LIMIT", x.count(8), 3);
        SqueezedLines y = Make.withPages(2);
        y.setRoom(0);
        Make.typeAll(y, "0:0=1*;1:0=1*;0:1=1,2,3,4,5,6,7,8;1:1=0*");
        edges.due("readLines()", y.readLines(), 4);
        edges.due("count(8) after readLines(), for three of its entries", y.count(8), 3);
    }

    // ---- promise 14

    private void peek() {
        edges.of(14, "Returns a word;", () -> {
            SqueezedLines x = Make.withPages(10);
            x.write(9, 7, 7, 65535);
            edges.due("peek(9, 7, 7)", x.peek(9, 7, 7), 65535);
            edges.due("peek(9, 7, 6)", x.peek(9, 7, 6), 0);
            edges.due("peek(9, 6, 7)", x.peek(9, 6, 7), 0);
            edges.due("peek(8, 7, 7)", x.peek(8, 7, 7), 0);
        });
        edges.of(14, "this is not a look.", () -> {
            edges.changesNothing("peek(0, 1, 0)", Make::lived, x -> x.peek(0, 1, 0));
            edges.changesNothing("peek(2, 0, 0) where the hint is empty", Make::lived, x -> x.peek(2, 0, 0));
        });
        edges.of(14, "`page`: a page", () -> edges.pages("peek", (x, page) -> x.peek(page, 0, 0)));
        eight(14, "line", "peek in a line", (x, line) -> x.peek(0, line, 0));
        eight(14, "word", "peek of a word", (x, word) -> x.peek(0, 0, word));
        edges.of(14, "its value", () -> {
            SqueezedLines x = Make.withPages(1);
            int[] values = {0, 1, 255, 256, 65534, 65535};
            for (int value : values) {
                x.write(0, 7, 7, value);
                edges.due("peek(0, 7, 7)", x.peek(0, 7, 7), value);
            }
        });
        refused(14, "NO_SUCH if there is no such page, line or word", Edges.NO_SUCH, x -> x.peek(3, 0, 0), x -> x.peek(5, 0, 0),
                x -> x.peek(1, 8, 0), x -> x.peek(1, -1, 0), x -> x.peek(1, 0, 8), x -> x.peek(1, 0, -1));
    }

    // ---- promise 15

    private void page() {
        changesNothing(15, "Returns something about a page.", x -> x.page(0, 0), x -> x.page(0, 1), x -> x.page(0, 2),
                x -> x.page(0, 3), x -> x.page(0, 4));
        edges.of(15, "`page`: a page", () -> edges.pages("page", (x, page) -> x.page(page, 1)));
        what(15, "`what`: 0 for", "page", 4, (x, what) -> x.page(0, what));
        edges.of(15, "its slot size,", () -> {
            for (int slot : new int[] {0, 1, 3, 4, 8}) {
                edges.due("page(0, 0)", Make.withSlot(slot).page(0, 0), slot);
            }
        });
        edges.of(15, "1 for its size,", () -> {
            edges.due("page(0, 1) of a new page", Make.withPages(1).page(0, 1), 1);
            SqueezedLines x = Make.withSlot(4);
            Make.rawLines(x, 0, 0, 7);
            edges.due("page(0, 1), the greatest", x.page(0, 1), 97);
        });
        edges.of(15, "2 for the set of its lines that are beside (a bit mask),", () -> {
            edges.due("page(0, 2) of a new page", Make.withPages(1).page(0, 2), 0);
            for (int line = 0; line < 8; line++) {
                SqueezedLines x = Make.withPages(1);
                x.fill(0, line, 1);
                edges.due("page(0, 2) with line " + line, x.page(0, 2), 1 << line);
            }
            SqueezedLines x = Make.withSlot(0);
            Make.sameLines(x, 0, 0, 7);
            edges.due("page(0, 2) with all lines", x.page(0, 2), 255);
        });
        edges.of(15, "3 for its best slot size,", () -> {
            SqueezedLines x = Make.withSlot(8);
            edges.due("page(0, 3) of zeros", x.page(0, 3), 0);
            Make.rawLines(x, 0, 0, 7);
            edges.due("page(0, 3) with room 8", x.page(0, 3), 0);
            x.setRoom(7);
            edges.due("page(0, 3) with room 7", x.page(0, 3), 8);
            x.fill(0, 0, 0);
            edges.due("page(0, 3) with seven raw lines", x.page(0, 3), 0);
            edges.due("page(0, 0) is another one", x.page(0, 0), 8);
        });
        edges.of(15, "4 for the size that it would have with this slot size", () -> {
            SqueezedLines x = Make.withSlot(8);
            edges.due("page(0, 4) of zeros", x.page(0, 4), 1);
            Make.rawLines(x, 0, 0, 7);
            edges.due("page(0, 4) with raw lines", x.page(0, 4), 65);
            x.fill(0, 0, 0);
            edges.due("page(0, 4) with seven raw lines", x.page(0, 4), 57);
            edges.due("page(0, 1) is another one", x.page(0, 1), 65);
        });
        refused(15, "the number; NO_SUCH if there is no such page;", Edges.NO_SUCH, x -> x.page(3, 0), x -> x.page(5, 0),
                x -> x.page(-1, 0), x -> x.page(10, 4), x -> x.page(3, 5), x -> x.page(3, -1));
        refused(15, "BAD_VALUE if what is out of range", Edges.BAD_VALUE, x -> x.page(0, 5), x -> x.page(0, -1), x -> x.page(4, 8));
    }

    // ---- promise 16

    private void line() {
        changesNothing(16, "Returns something about a line.", x -> x.line(0, 1, 0), x -> x.line(0, 1, 1), x -> x.line(0, 1, 2),
                x -> x.line(0, 1, 3), x -> x.line(0, 1, 4));
        edges.of(16, "`page`: a page", () -> edges.pages("line", (x, page) -> x.line(page, 0, 0)));
        eight(16, "line", "line", (x, line) -> x.line(0, line, 4));
        what(16, "`what`: 0 for", "line", 4, (x, what) -> x.line(0, 0, what));
        int[] sizes = {0, 1, 3, 4, 8};
        edges.of(16, "its form,", () -> {
            for (int form = 0; form < 5; form++) {
                SqueezedLines x = Make.withPages(1);
                Make.line(x, 0, 7, form);
                edges.due("line(0, 7, 0)", x.line(0, 7, 0), form);
                edges.due("line(0, 6, 0)", x.line(0, 6, 0), 0);
            }
        });
        edges.of(16, "1 for its size,", () -> {
            for (int form = 0; form < 5; form++) {
                SqueezedLines x = Make.withPages(1);
                Make.line(x, 0, 7, form);
                edges.due("line(0, 7, 1)", x.line(0, 7, 1), sizes[form]);
                edges.due("line(0, 6, 1)", x.line(0, 6, 1), 0);
            }
        });
        edges.of(16, "2 for 1 if it is beside, otherwise 0,", () -> {
            for (int slot : sizes) {
                for (int form = 0; form < 5; form++) {
                    SqueezedLines x = Make.withSlot(slot);
                    Make.line(x, 0, 7, form);
                    edges.due("line(0, 7, 2) with slot " + slot, x.line(0, 7, 2), sizes[form] > slot ? 1 : 0);
                    edges.due("line(0, 6, 2) with slot " + slot, x.line(0, 6, 2), 0);
                }
            }
        });
        edges.of(16, "3 for its least word,", () -> leastAndGreatest(3));
        edges.of(16, "4 for its greatest word", () -> leastAndGreatest(4));
        refused(16, "the number; NO_SUCH if there is no such page or line;", Edges.NO_SUCH, x -> x.line(3, 0, 0),
                x -> x.line(5, 0, 0), x -> x.line(1, 8, 0), x -> x.line(1, -1, 0), x -> x.line(3, 0, 5), x -> x.line(0, 8, 5));
        refused(16, "BAD_VALUE if what is out of range", Edges.BAD_VALUE, x -> x.line(0, 0, 5), x -> x.line(0, 0, -1));
    }

    private void leastAndGreatest(int what) {
        SqueezedLines x = Make.withPages(1);
        edges.due("line(0, 0, " + what + ") of zeros", x.line(0, 0, what), 0);
        x.fill(0, 0, 65535);
        edges.due("line(0, 0, " + what + ") of 65535", x.line(0, 0, what), 65535);
        for (int word = 0; word < 8; word++) {
            SqueezedLines y = Make.withPages(1);
            y.fill(0, 7, 30000);
            y.write(0, 7, word, 29999);
            edges.due("line(0, 7, " + what + ") with the least word " + word, y.line(0, 7, what), what == 3 ? 29999 : 30000);
            y.write(0, 7, word, 30001);
            edges.due("line(0, 7, " + what + ") with the greatest word " + word, y.line(0, 7, what), what == 3 ? 30000 : 30001);
        }
    }

    // ---- promise 17

    private void lines() {
        edges.of(17, "Returns the number of lines of all pages that have a form.", () -> {
            for (int form = 0; form < 5; form++) {
                edges.due("lines(" + form + ") without pages", new SqueezedLines().lines(form), 0);
                SqueezedLines x = Make.withPages(10);
                edges.due("lines(" + form + ") of ten new pages", x.lines(form), form == 0 ? 80 : 0);
                x.setBound(999);
                x.setRoom(8);
                for (int i = 0; i < 80; i++) {
                    Make.line(x, i / 8, i % 8, form);
                }
                edges.due("lines(" + form + ") of ten pages full of them", x.lines(form), 80);
                edges.due("lines() of another form", x.lines((form + 1) % 5), 0);
                x.free(9);
                edges.due("lines(" + form + ") without page 9", x.lines(form), 72);
            }
        });
        what(17, "`form`: 0 to 4", "lines", 4, SqueezedLines::lines);
        edges.of(17, "the number;", () -> {
            SqueezedLines x = Make.lived();
            int[] wanted = {28, 1, 1, 1, 1};
            for (int form = 0; form < 5; form++) {
                edges.due("lines(" + form + ")", x.lines(form), wanted[form]);
            }
        });
        refused(17, "BAD_VALUE if form is out of range", Edges.BAD_VALUE, x -> x.lines(5), x -> x.lines(-1), x -> x.lines(8));
    }

    // ---- promise 18

    private void hint() {
        changesNothing(18, "Returns something about a hint.", x -> x.hint(0, 0), x -> x.hint(0, 1), x -> x.hint(3, 0));
        edges.of(18, "`hint`: 0 to 3", () -> {
            Edges.Making making = () -> {
                SqueezedLines x = Make.withPages(4);
                for (int page = 0; page < 4; page++) {
                    x.look(page, 0, 0);
                }
                return x;
            };
            edges.range("hint", making, 0, 3, Edges.NO_SUCH, (x, hint) -> x.hint(hint, 0));
            SqueezedLines x = making.get();
            for (int hint = 0; hint < 4; hint++) {
                edges.due("hint(" + hint + ", 0)", x.hint(hint, 0), hint);
            }
        });
        what(18, "`what`: 0 for its page, 1 for the set of lines that it tells to be beside (a bit mask)", "hint", 1,
                (x, what) -> x.hint(0, what));
        edges.of(18, "the number;", () -> {
            for (int line = 0; line < 8; line++) {
                SqueezedLines x = Make.withPages(10);
                x.fill(9, line, 1);
                x.look(9, 0, 0);
                edges.due("hint(1, 0)", x.hint(1, 0), 9);
                edges.due("hint(1, 1)", x.hint(1, 1), 1 << line);
                x.fill(9, line, 0);
                edges.due("hint(1, 1): what it tells, not what is so", x.hint(1, 1), 1 << line);
            }
        });
        refused(18, "NO_SUCH if there is no such hint;", Edges.NO_SUCH, x -> x.hint(4, 0), x -> x.hint(-1, 0), x -> x.hint(4, 2),
                x -> x.hint(-1, -1));
        refused(18, "BAD_VALUE if what is out of range;", Edges.BAD_VALUE, x -> x.hint(0, 2), x -> x.hint(0, -1),
                x -> x.hint(2, 2), x -> x.hint(2, -1));
        edges.of(18, "NONE if it is empty", () -> {
            SqueezedLines x = new SqueezedLines();
            for (int hint = 0; hint < 4; hint++) {
                edges.due("hint(" + hint + ", 0)", x.hint(hint, 0), Edges.NONE);
                edges.due("hint(" + hint + ", 1)", x.hint(hint, 1), Edges.NONE);
            }
            x.newPage();
            x.look(0, 0, 0);
            edges.due("hint(0, 1): of no line, but not empty", x.hint(0, 1), 0);
            x.undo();
            edges.due("hint(0, 1) after undo()", x.hint(0, 1), Edges.NONE);
        });
    }

    // ---- promise 19

    /** Lines of eight words that are equal, that differ in one word, and that have the same words in another order. */
    private void equalLinesOfManyWords() {
        for (int line = 0; line < 8; line++) {
            for (int word = 0; word < 8; word++) {
                SqueezedLines x = Make.withPages(3);
                Make.typeAll(x, "0:" + line + "=1,2,3,4,5,6,7,8;2:0=8,7,6,5,4,3,2,1");
                x.readLines();
                x.copy(0, line, 1, 3);
                String which = "equalLines(0, " + line + ")";
                edges.due(which, x.equalLines(0, line), 2);
                x.add(1, 3, 1);
                edges.due(which + " after add(1, 3, 1)", x.equalLines(0, line), 1);
                x.add(1, 3, -1);
                edges.due(which + " after add(1, 3, -1)", x.equalLines(0, line), 2);
                x.write(1, 3, word, 9);
                edges.due(which + " with another word " + word, x.equalLines(0, line), 1);
            }
        }
    }

    private void equalLines() {
        edges.of(19, "Returns the number of lines of all pages that are equal to a line, that line itself included.", () -> {
            edges.due("equalLines(0, 0) of one new page", Make.withPages(1).equalLines(0, 0), 8);
            SqueezedLines x = Make.withPages(10);
            edges.due("equalLines(9, 7) of ten new pages", x.equalLines(9, 7), 80);
            x.fill(9, 7, 1);
            edges.due("equalLines(9, 7): itself alone", x.equalLines(9, 7), 1);
            edges.due("equalLines(0, 0): all others", x.equalLines(0, 0), 79);
            for (int word = 0; word < 8; word++) {
                x.fill(0, 0, 1);
                edges.due("equalLines(9, 7) with line 0 of page 0", x.equalLines(9, 7), 2);
                x.write(0, 0, word, 2);
                edges.due("equalLines(9, 7): one word is another one", x.equalLines(9, 7), 1);
            }
            equalLinesOfManyWords();
        });
        edges.of(19, "`page`: a page", () -> edges.pages("equalLines", (x, page) -> x.equalLines(page, 0)));
        eight(19, "line", "equalLines", (x, line) -> x.equalLines(0, line));
        changesNothing(19, "the number;", x -> x.equalLines(0, 0), x -> x.equalLines(4, 7));
        refused(19, "NO_SUCH if there is no such page or line", Edges.NO_SUCH, x -> x.equalLines(3, 0), x -> x.equalLines(5, 0),
                x -> x.equalLines(1, 8), x -> x.equalLines(1, -1));
    }
}
