/** The sentences of the promises 8 to 12: words. */
final class EdgesOfWords {
    private final Edges edges;

    EdgesOfWords(Edges edges) {
        this.edges = edges;
    }

    void run() {
        write();
        fill();
        add();
        copy();
        look();
    }

    private void undoable(int part, String name, Edges.Making making, Edges.Call call) {
        edges.of(part, "Undoable.", () -> edges.undoable(name, making, call));
    }

    private void eight(int part, String argument, String name, Edges.CallOf call) {
        edges.of(part, "`" + argument + "`: 0 to 7", () -> edges.range(name, Make::lived, 0, 7, Edges.NO_SUCH, call));
    }

    private void refused(int part, String words, int code, Edges.Making making, Edges.Call... calls) {
        edges.of(part, words, () -> {
            for (int i = 0; i < calls.length; i++) {
                edges.refused("call " + i, making, calls[i], code);
            }
        });
    }

    /** Page 0 has three raw lines beside, page 1 is new: 26. */
    private static SqueezedLines below() {
        SqueezedLines x = Make.withPages(2);
        Make.rawLines(x, 0, 0, 2);
        return x;
    }

    private void wordsAre(SqueezedLines x, int page, int line, int... words) {
        for (int word = 0; word < 8; word++) {
            edges.due("peek(" + page + ", " + line + ", " + word + ")", x.peek(page, line, word), words[word]);
        }
    }

    // ---- promise 8

    private void write() {
        edges.of(8, "Writes a word.", () -> {
            int[] places = {0, 7};
            for (int line : places) {
                for (int word : places) {
                    SqueezedLines x = Make.withPages(10);
                    x.write(9, line, word, 65535);
                    edges.due("peek(9, line, word)", x.peek(9, line, word), 65535);
                    edges.due("lines(0): no other line", x.lines(0), 79);
                    edges.due("line(9, line, 3): no other word", x.line(9, line, 3), 0);
                    edges.due("peek(9, line, other word)", x.peek(9, line, 7 - word), 0);
                }
            }
        });
        undoable(8, "write(0, 7, 7, 65535)", Make::lived, x -> x.write(0, 7, 7, 65535));
        undoable(8, "write() of the word that is", Make::lived, x -> x.write(0, 3, 0, 9));
        edges.of(8, "`page`: a page", () -> edges.pages("write", (x, page) -> x.write(page, 0, 0, 1)));
        eight(8, "line", "write in a line", (x, line) -> x.write(0, line, 0, 1));
        eight(8, "word", "write of a word", (x, word) -> x.write(0, 0, word, 1));
        edges.of(8, "`value`: 0 to 65535", () -> edges.range("write of a value", Make::lived, 0, 65535, Edges.BAD_VALUE,
                (x, value) -> x.write(0, 0, 0, value)));
        edges.of(8, "the form of the line then", () -> {
            SqueezedLines x = Make.withPages(1);
            edges.due("write(0, 0, 0, 0)", x.write(0, 0, 0, 0), 0);
            edges.due("write(0, 0, 0, 15)", x.write(0, 0, 0, 15), 2);
            edges.due("write(0, 0, 0, 16)", x.write(0, 0, 0, 16), 3);
            edges.due("write(0, 0, 0, 255)", x.write(0, 0, 0, 255), 3);
            edges.due("write(0, 0, 0, 256)", x.write(0, 0, 0, 256), 4);
            x.fill(0, 0, 9);
            edges.due("write(0, 0, 7, 9)", x.write(0, 0, 7, 9), 1);
        });
        refused(8, "NO_SUCH if there is no such page, line or word", Edges.NO_SUCH, Make::lived, x -> x.write(3, 0, 0, 1),
                x -> x.write(5, 0, 0, 1), x -> x.write(1, 8, 0, 1), x -> x.write(1, -1, 0, 1), x -> x.write(1, 0, 8, 1),
                x -> x.write(1, 0, -1, 1));
        refused(8, "BAD_VALUE if value is out of range", Edges.BAD_VALUE, Make::lived, x -> x.write(1, 0, 0, 65536),
                x -> x.write(1, 0, 0, -1), x -> x.write(1, 0, 0, -65536), x -> x.write(1, 0, 0, 65536 * 2));
        edges.of(8, "LIMIT as told under Bound", () -> {
            edges.limit("write(1, 7, 7, 1)", EdgesOfWords::below, 34, x -> x.write(1, 7, 7, 1));
            edges.limit("write(0, 3, 0, 1000) that lays page 0 anew", EdgesOfWords::below, 66, x -> x.write(0, 3, 0, 1000));
            edges.aboveBound("write(0, 0, 7, 1000)", Make::aboveBound, x -> x.write(0, 0, 7, 1000), 50);
            edges.refused("write(0, 7, 0, 1) above the bound", Make::aboveBound, x -> x.write(0, 7, 0, 1), Edges.LIMIT);
        });
    }

    // ---- promise 9

    private void fill() {
        edges.of(9, "Gives all words of a line a value.", () -> {
            for (int line = 0; line < 8; line += 7) {
                SqueezedLines x = Make.withPages(10);
                x.fill(9, line, 65535);
                wordsAre(x, 9, line, 65535, 65535, 65535, 65535, 65535, 65535, 65535, 65535);
                edges.due("lines(0): no other line", x.lines(0), 79);
                x.fill(9, line, 0);
                wordsAre(x, 9, line, 0, 0, 0, 0, 0, 0, 0, 0);
            }
        });
        undoable(9, "fill(0, 7, 65535)", Make::lived, x -> x.fill(0, 7, 65535));
        undoable(9, "fill() with the value that is", Make::lived, x -> x.fill(0, 3, 9));
        edges.of(9, "`page`: a page", () -> edges.pages("fill", (x, page) -> x.fill(page, 0, 1)));
        eight(9, "line", "fill of a line", (x, line) -> x.fill(0, line, 1));
        edges.of(9, "`value`: 0 to 65535", () -> edges.range("fill with a value", Make::lived, 0, 65535, Edges.BAD_VALUE,
                (x, value) -> x.fill(0, 0, value)));
        edges.of(9, "the form of the line then", () -> {
            SqueezedLines x = Make.withPages(1);
            edges.due("fill(0, 0, 0)", x.fill(0, 0, 0), 0);
            edges.due("fill(0, 0, 1)", x.fill(0, 0, 1), 1);
            edges.due("fill(0, 0, 65535)", x.fill(0, 0, 65535), 1);
            edges.due("fill(0, 0, 0)", x.fill(0, 0, 0), 0);
        });
        refused(9, "NO_SUCH if there is no such page or line", Edges.NO_SUCH, Make::lived, x -> x.fill(3, 0, 1),
                x -> x.fill(5, 0, 1), x -> x.fill(1, 8, 1), x -> x.fill(1, -1, 1));
        refused(9, "BAD_VALUE if value is out of range", Edges.BAD_VALUE, Make::lived, x -> x.fill(1, 0, 65536),
                x -> x.fill(1, 0, -1), x -> x.fill(1, 0, -65536), x -> x.fill(1, 0, 65536 * 2));
        edges.of(9, "LIMIT as told under Bound", () -> {
            edges.limit("fill(1, 7, 1)", EdgesOfWords::below, 34, x -> x.fill(1, 7, 1));
            // Three raw lines and one "same": slot 1 with three lines beside.
            edges.limit("fill(0, 3, 1) that lays page 0 anew", EdgesOfWords::below, 34, x -> x.fill(0, 3, 1));
            edges.aboveBound("fill(0, 0, 65535)", Make::aboveBound, x -> x.fill(0, 0, 65535), 50);
            edges.refused("fill(0, 7, 1) above the bound", Make::aboveBound, x -> x.fill(0, 7, 1), Edges.LIMIT);
        });
    }

    // ---- promise 10

    private void add() {
        edges.of(10, "Adds a number to each word of a line,", () -> {
            SqueezedLines x = Make.withPages(10);
            Make.typeAll(x, "9:7=0,1,2,3,4,5,6,100");
            x.readLines();
            x.add(9, 7, 65435);
            wordsAre(x, 9, 7, 65435, 65436, 65437, 65438, 65439, 65440, 65441, 65535);
            x.add(9, 7, -65435);
            wordsAre(x, 9, 7, 0, 1, 2, 3, 4, 5, 6, 100);
            x.add(9, 7, 0);
            wordsAre(x, 9, 7, 0, 1, 2, 3, 4, 5, 6, 100);
            edges.due("lines(0): no other line", x.lines(0), 79);
        });
        edges.of(10, "modulo 65536.", () -> {
            int[] words = {0, 0, 0, 0, 1, 1, 1, 65535, 65535, 65535, 65535, 32768, 32768};
            int[] numbers = {-1, -65535, 65535, 1, 65535, -1, -2, 1, 65535, -65535, 2, 32768, 32767};
            int[] wanted = {65535, 1, 65535, 1, 0, 0, 65535, 0, 65534, 0, 1, 0, 65535};
            for (int i = 0; i < words.length; i++) {
                SqueezedLines x = Make.withPages(1);
                x.fill(0, 7, words[i]);
                edges.due(words[i] + " and add(0, 7, " + numbers[i] + ")", x.add(0, 7, numbers[i]), wanted[i] == 0 ? 0 : 1);
                edges.due("peek(0, 7, 0)", x.peek(0, 7, 0), wanted[i]);
                edges.due("peek(0, 7, 7)", x.peek(0, 7, 7), wanted[i]);
            }
        });
        undoable(10, "add(0, 1, 65535)", Make::lived, x -> x.add(0, 1, 65535));
        undoable(10, "add(0, 1, 0)", Make::lived, x -> x.add(0, 1, 0));
        edges.of(10, "`page`: a page", () -> edges.pages("add", (x, page) -> x.add(page, 0, 1)));
        eight(10, "line", "add in a line", (x, line) -> x.add(0, line, 1));
        edges.of(10, "`number`: -65535 to 65535", () -> edges.range("add of a number", Make::lived, -65535, 65535, Edges.BAD_VALUE,
                (x, number) -> x.add(0, 0, number)));
        edges.of(10, "the form of the line then", () -> {
            SqueezedLines x = Make.withPages(1);
            edges.due("add(0, 0, 0)", x.add(0, 0, 0), 0);
            edges.due("add(0, 0, 65535)", x.add(0, 0, 65535), 1);
            edges.due("add(0, 0, 1)", x.add(0, 0, 1), 0);
            x.write(0, 0, 0, 15);
            edges.due("add(0, 0, 65520): to the greatest value", x.add(0, 0, 65520), 2);
            edges.due("add(0, 0, 1): one word goes around", x.add(0, 0, 1), 4);
            edges.due("add(0, 0, 15): all words have gone around", x.add(0, 0, 15), 2);
            x.write(0, 1, 0, 16);
            edges.due("add(0, 1, 239): to 255", x.add(0, 1, 239), 3);
            edges.due("add(0, 1, 1): to 256", x.add(0, 1, 1), 4);
        });
        refused(10, "NO_SUCH if there is no such page or line", Edges.NO_SUCH, Make::lived, x -> x.add(3, 0, 1),
                x -> x.add(5, 0, 1), x -> x.add(1, 8, 1), x -> x.add(1, -1, 1));
        refused(10, "BAD_VALUE if number is out of range", Edges.BAD_VALUE, Make::lived, x -> x.add(1, 0, 65536),
                x -> x.add(1, 0, -65536), x -> x.add(1, 0, 65536 * 2), x -> x.add(1, 0, -65536 * 2));
        edges.of(10, "LIMIT as told under Bound", () -> {
            edges.limit("add(1, 7, -1)", EdgesOfWords::below, 34, x -> x.add(1, 7, -1));
            edges.limit("add(0, 3, 1) that lays page 0 anew", EdgesOfWords::below, 34, x -> x.add(0, 3, 1));
            edges.aboveBound("add(0, 0, 1)", Make::aboveBound, x -> x.add(0, 0, 1), 50);
            edges.refused("add(0, 7, 1) above the bound", Make::aboveBound, x -> x.add(0, 7, 1), Edges.LIMIT);
        });
    }

    // ---- promise 11

    private void copy() {
        edges.of(11, "Copies a line over another one.", () -> {
            SqueezedLines x = Make.withPages(10);
            Make.typeAll(x, "0:0=0,1,2,3,4,5,6,65535");
            x.readLines();
            x.copy(0, 0, 9, 7);
            wordsAre(x, 9, 7, 0, 1, 2, 3, 4, 5, 6, 65535);
            wordsAre(x, 0, 0, 0, 1, 2, 3, 4, 5, 6, 65535);
            edges.due("lines(0): no other line", x.lines(0), 78);
            x.write(0, 0, 0, 9);
            edges.due("peek(9, 7, 0): the copy stays", x.peek(9, 7, 0), 0);
            x.copy(9, 0, 9, 7);
            edges.due("lines(0): zeros are copied too", x.lines(0), 79);
        });
        undoable(11, "copy(0, 1, 1, 7)", Make::lived, x -> x.copy(0, 1, 1, 7));
        undoable(11, "copy(0, 1, 0, 1) over itself", Make::lived, x -> x.copy(0, 1, 0, 1));
        edges.of(11, "`page`: a page", () -> edges.pages("copy of a page", (x, page) -> x.copy(page, 0, 0, 1)));
        edges.of(11, "`page`: a page", () -> edges.refused("copy(3, 0, 0, 0)", Make::lived, x -> x.copy(3, 0, 0, 0), Edges.NO_SUCH));
        eight(11, "line", "copy of a line", (x, line) -> x.copy(0, line, 1, 0));
        edges.of(11, "`otherPage`: the page of the line that becomes the same, possibly the same page", () -> {
            edges.range("copy to a page", () -> Make.withPages(10), 0, 9, Edges.NO_SUCH, (x, page) -> x.copy(0, 0, page, 1));
            edges.refused("copy to a page that is freed", Make::lived, x -> x.copy(0, 0, 3, 0), Edges.NO_SUCH);
            SqueezedLines x = Make.withPages(1);
            x.fill(0, 0, 9);
            edges.due("copy(0, 0, 0, 7): the same page", x.copy(0, 0, 0, 7), 1);
            edges.due("page(0, 2)", x.page(0, 2), 128 + 1);
            edges.due("copy(0, 0, 0, 0): the same line", x.copy(0, 0, 0, 0), 1);
            edges.due("page(0, 2)", x.page(0, 2), 128 + 1);
            edges.due("equalLines(0, 0)", x.equalLines(0, 0), 2);
        });
        edges.of(11, "`otherLine`: 0 to 7", () -> edges.range("copy to a line", Make::lived, 0, 7, Edges.NO_SUCH,
                (x, line) -> x.copy(0, 1, 1, line)));
        edges.of(11, "the form of the line;", () -> {
            SqueezedLines x = Make.withPages(2);
            for (int form = 0; form < 5; form++) {
                Make.line(x, 0, 7, form);
                edges.due("copy(0, 7, 1, 0) of the form " + form, x.copy(0, 7, 1, 0), form);
            }
        });
        refused(11, "NO_SUCH if there is no such page or line", Edges.NO_SUCH, Make::lived, x -> x.copy(3, 0, 1, 0),
                x -> x.copy(5, 0, 1, 0), x -> x.copy(1, 8, 1, 0), x -> x.copy(1, -1, 1, 0), x -> x.copy(1, 0, 3, 0),
                x -> x.copy(1, 0, 5, 0), x -> x.copy(1, 0, 1, 8), x -> x.copy(1, 0, 1, -1), x -> x.copy(3, 8, 3, -1));
        edges.of(11, "LIMIT as told under Bound", () -> {
            edges.limit("copy(0, 0, 1, 7)", EdgesOfWords::below, 34, x -> x.copy(0, 0, 1, 7));
            edges.limit("copy(0, 0, 0, 3) that lays page 0 anew", EdgesOfWords::below, 66, x -> x.copy(0, 0, 0, 3));
            edges.aboveBound("copy(0, 0, 1, 2)", Make::aboveBound, x -> x.copy(0, 0, 1, 2), 50);
            edges.aboveBound("copy(0, 0, 0, 0)", Make::aboveBound, x -> x.copy(0, 0, 0, 0), 50);
            edges.refused("copy(0, 0, 1, 3) above the bound", Make::aboveBound, x -> x.copy(0, 0, 1, 3), Edges.LIMIT);
        });
    }

    // ---- promise 12

    private void look() {
        edges.of(12, "Looks at a word.", () -> {
            SqueezedLines x = Make.withPages(10);
            x.look(9, 7, 7);
            edges.due("count(6)", x.count(6), 1);
            edges.due("hint(1, 0)", x.hint(1, 0), 9);
            x.look(9, 0, 0);
            edges.due("count(5)", x.count(5), 1);
            edges.due("count(7)", x.count(7), 3);
        });
        undoable(12, "look(0, 0, 0), a miss", Make::lived, x -> x.look(0, 0, 0));
        undoable(12, "look(1, 0, 0), a hit", Make::lived, x -> x.look(1, 0, 0));
        edges.of(12, "`page`: a page", () -> edges.pages("look", (x, page) -> x.look(page, 0, 0)));
        eight(12, "line", "look at a line", (x, line) -> x.look(0, line, 0));
        eight(12, "word", "look at a word", (x, word) -> x.look(0, 0, word));
        edges.of(12, "its value", () -> {
            SqueezedLines x = Make.withPages(10);
            Make.typeAll(x, "9:7=65535,0,1,2,3,4,5,65534");
            x.readLines();
            int[] words = {65535, 0, 1, 2, 3, 4, 5, 65534};
            for (int word = 0; word < 8; word++) {
                edges.due("look(9, 7, " + word + ")", x.look(9, 7, word), words[word]);
            }
            edges.due("look(9, 6, 0)", x.look(9, 6, 0), 0);
        });
        refused(12, "NO_SUCH if there is no such page, line or word", Edges.NO_SUCH, Make::lived, x -> x.look(3, 0, 0),
                x -> x.look(5, 0, 0), x -> x.look(1, 8, 0), x -> x.look(1, -1, 0), x -> x.look(1, 0, 8), x -> x.look(1, 0, -1));
    }
}
