/** The sentences of the promises 20 to 23: forecasts. */
final class EdgesOfForecasts {
    private final Edges edges;

    EdgesOfForecasts(Edges edges) {
        this.edges = edges;
    }

    void run() {
        edges.of(Edges.TERMS, "forecasts; they change nothing.", this::changeNothing);
        ifWritten();
        ifRoom();
        loosest();
        rawPagesLeft();
    }

    private void refused(int part, String words, int code, Edges.Call... calls) {
        edges.of(part, words, () -> {
            for (int i = 0; i < calls.length; i++) {
                edges.refused("call " + i, Make::lived, calls[i], code);
            }
        });
    }

    private void changeNothing() {
        edges.changesNothing("ifWritten(0, 0, 0, 1000)", Make::lived, x -> x.ifWritten(0, 0, 0, 1000));
        edges.changesNothing("ifWritten(1, 3, 0, 0)", Make::lived, x -> x.ifWritten(1, 3, 0, 0));
        edges.changesNothing("ifWritten() above the bound", Make::aboveBound, x -> x.ifWritten(0, 3, 0, 1000));
        for (int room = 0; room <= 8; room++) {
            int number = room;
            edges.changesNothing("ifRoom(" + room + ")", Make::lived, x -> x.ifRoom(number));
            edges.changesNothing("ifRoom(" + room + ") above the bound", Make::aboveBound, x -> x.ifRoom(number));
        }
        edges.changesNothing("loosest()", Make::lived, SqueezedLines::loosest);
        edges.changesNothing("loosest() that finds none", Make::atBound, SqueezedLines::loosest);
        edges.changesNothing("rawPagesLeft()", Make::lived, SqueezedLines::rawPagesLeft);
        edges.changesNothing("rawPagesLeft() above the bound", Make::aboveBound, SqueezedLines::rawPagesLeft);
    }

    // ---- promise 20

    private void ifWritten() {
        edges.of(20, "Tells what the sum of the sizes of all pages would be if a word was written.", () -> {
            int[] values = {0, 9, 15, 16, 255, 256, 65535};
            for (int value : values) {
                for (int line = 0; line < 8; line++) {
                    for (int word = 0; word < 8; word++) {
                        SqueezedLines x = Make.lived();
                        int told = x.ifWritten(0, line, word, value);
                        x.write(0, line, word, value);
                        edges.due("count(1) after write(0, " + line + ", " + word + ", " + value + ")", x.count(1), told);
                    }
                }
            }
        });
        edges.of(20, "`page`: a page", () -> edges.pages("ifWritten", (x, page) -> x.ifWritten(page, 0, 0, 1)));
        edges.of(20, "`line`: 0 to 7", () -> edges.range("ifWritten in a line", Make::lived, 0, 7, Edges.NO_SUCH,
                (x, line) -> x.ifWritten(0, line, 0, 1)));
        edges.of(20, "`word`: 0 to 7", () -> edges.range("ifWritten of a word", Make::lived, 0, 7, Edges.NO_SUCH,
                (x, word) -> x.ifWritten(0, 0, word, 1)));
        edges.of(20, "`value`: 0 to 65535", () -> edges.range("ifWritten of a value", Make::lived, 0, 65535, Edges.BAD_VALUE,
                (x, value) -> x.ifWritten(0, 0, 0, value)));
        edges.of(20, "the sum,", () -> {
            SqueezedLines x = Make.withPages(10);
            edges.due("ifWritten(9, 7, 7, 0): the word that is", x.ifWritten(9, 7, 7, 0), 10);
            edges.due("ifWritten(9, 7, 7, 1)", x.ifWritten(9, 7, 7, 1), 18);
            Make.sameLines(x, 9, 0, 2);
            edges.due("ifWritten(9, 7, 7, 1) that lays the page anew", x.ifWritten(9, 7, 7, 1), 9 + 17);
            edges.due("ifWritten(9, 0, 0, 65535): as many beside as the room tells", x.ifWritten(9, 0, 0, 65535), 34);
        });
        edges.of(20, "also if it would be too great;", () -> {
            SqueezedLines x = Make.atBound();
            edges.due("ifWritten(3, 0, 0, 1) at the bound", x.ifWritten(3, 0, 0, 1), 28);
            edges.due("write(3, 0, 0, 1)", x.write(3, 0, 0, 1), Edges.LIMIT);
            SqueezedLines y = Make.aboveBound();
            edges.due("ifWritten(0, 0, 0, 0) above the bound, less", y.ifWritten(0, 0, 0, 0), 42);
            edges.due("ifWritten(0, 0, 0, 1) above the bound, the same", y.ifWritten(0, 0, 0, 1), 50);
            edges.due("ifWritten(0, 3, 0, 1000) above the bound, more", y.ifWritten(0, 3, 0, 1000), 90);
        });
        refused(20, "NO_SUCH if there is no such page, line or word;", Edges.NO_SUCH, x -> x.ifWritten(3, 0, 0, 1),
                x -> x.ifWritten(5, 0, 0, 1), x -> x.ifWritten(1, 8, 0, 1), x -> x.ifWritten(1, -1, 0, 1),
                x -> x.ifWritten(1, 0, 8, 1), x -> x.ifWritten(1, 0, -1, 1), x -> x.ifWritten(3, 0, 0, 65536));
        refused(20, "BAD_VALUE if value is out of range", Edges.BAD_VALUE, x -> x.ifWritten(1, 0, 0, 65536),
                x -> x.ifWritten(1, 0, 0, -1), x -> x.ifWritten(1, 0, 0, -65536), x -> x.ifWritten(1, 0, 0, 65536 * 2));
    }

    // ---- promise 21

    private void ifRoom() {
        edges.of(21, "Tells what the sum of the sizes of all pages would be with another room and with all pages laid anew.", () -> {
            for (int room = 0; room <= 8; room++) {
                SqueezedLines x = Make.lived();
                int told = x.ifRoom(room);
                x.setRoom(room);
                x.layAllAnew();
                edges.due("count(1) after setRoom(" + room + ") and layAllAnew()", x.count(1), told);
            }
        });
        edges.of(21, "`room`: 0 to 8", () -> edges.range("ifRoom", Make::lived, 0, 8, Edges.BAD_VALUE, SqueezedLines::ifRoom));
        edges.of(21, "the sum,", () -> {
            edges.due("ifRoom(0) without pages", new SqueezedLines().ifRoom(0), 0);
            edges.due("ifRoom(0) of ten new pages", Make.withPages(10).ifRoom(0), 10);
            SqueezedLines x = Make.withSlot(8);
            for (int lines = 1; lines <= 8; lines++) {
                Make.rawLines(x, 0, lines - 1, lines - 1);
                for (int room = 0; room <= 8; room++) {
                    edges.due("ifRoom(" + room + ") with " + lines + " raw lines", x.ifRoom(room), room < lines ? 65 : 1 + 8 * lines);
                }
            }
        });
        edges.of(21, "also if it would be too great;", () -> {
            SqueezedLines x = Make.atBound();
            edges.due("ifRoom(1) at the bound", x.ifRoom(1), 68);
            edges.due("setRoom(1)", x.setRoom(1), Edges.LIMIT);
            SqueezedLines y = Make.aboveBound();
            edges.due("ifRoom(3) above the bound", y.ifRoom(3), 50);
            edges.due("ifRoom(2) above the bound", y.ifRoom(2), 130);
        });
        refused(21, "BAD_VALUE if room is out of range", Edges.BAD_VALUE, x -> x.ifRoom(9), x -> x.ifRoom(-1), x -> x.ifRoom(100));
    }

    // ---- promise 22

    private void loosest() {
        edges.of(22, "Finds the page that would become less by the most units if it was laid anew;", () -> {
            for (int page = 0; page < 10; page++) {
                SqueezedLines x = Make.withPages(10);
                Make.sameLines(x, page, 0, 1);
                edges.due("loosest() with 8 units in page " + page, x.loosest(), page);
                Make.sameLines(x, (page + 3) % 10, 0, 2);
                edges.due("loosest() with 16 units in another page", x.loosest(), (page + 3) % 10);
                Make.sameLines(x, page, 2, 2);
                edges.due("loosest() with 16 units in both", x.loosest(), Math.min(page, (page + 3) % 10));
            }
        });
        edges.of(22, "of several the lowest.", () -> {
            SqueezedLines x = Make.withPages(10);
            for (int page = 9; page >= 0; page--) {
                Make.sameLines(x, page, 0, 1);
                edges.due("loosest() with all pages from " + page, x.loosest(), page);
            }
            x.free(0);
            edges.due("loosest() without page 0", x.loosest(), 1);
            x.layAnew(1);
            edges.due("loosest() after layAnew(1)", x.loosest(), 2);
        });
        edges.of(22, "the page;", () -> {
            SqueezedLines x = Make.lived();
            edges.due("loosest()", x.loosest(), 1);
            int before = x.count(1);
            int less = x.page(1, 1) - x.page(1, 4);
            x.layAnew(x.loosest());
            edges.due("count(1) after layAnew()", x.count(1), before - less);
        });
        edges.of(22, "NONE if no page would become less", () -> {
            edges.due("loosest() without pages", new SqueezedLines().loosest(), Edges.NONE);
            edges.due("loosest() of ten new pages", Make.withPages(10).loosest(), Edges.NONE);
            SqueezedLines x = Make.withPages(2);
            x.fill(1, 0, 1);
            edges.due("loosest() where slot 0 and 1 are as good", x.loosest(), Edges.NONE);
            Make.rawLines(x, 0, 0, 3);
            edges.due("loosest() where the room keeps a page from becoming less", x.loosest(), Edges.NONE);
            x.fill(0, 0, 0);
            edges.due("loosest() where the room no longer does", x.loosest(), 0);
        });
    }

    // ---- promise 23

    private void rawPagesLeft() {
        edges.of(23, "Tells how many pages full of lines of the form 4, which have a size of 65 each, could still be made and"
                + " filled within the bound;", () -> {
            for (int bound = 20; bound <= 400; bound++) {
                SqueezedLines x = Make.withPages(1);
                x.setBound(bound);
                edges.due("rawPagesLeft() of a page and the bound " + bound, x.rawPagesLeft(), (bound - 1) / 65);
            }
            for (int room = 0; room <= 8; room++) {
                SqueezedLines x = Make.withPages(1);
                x.setRoom(room);
                x.setBound(66 + 130);
                int left = x.rawPagesLeft();
                edges.due("rawPagesLeft() with room " + room, left, 3);
                x.setBound(1 + 130);
                edges.due("rawPagesLeft() with room " + room, x.rawPagesLeft(), 2);
                for (int page = 1; page <= 2; page++) {
                    x.newPage();
                    Make.rawLines(x, page, 0, 7);
                    edges.due("lines(4): the pages can be made and filled", x.lines(4), 8 * page);
                    edges.due("rawPagesLeft() after them", x.rawPagesLeft(), 2 - page);
                }
                edges.due("count(1) is the bound", x.count(1), 131);
            }
        });
        edges.of(23, "the limit of 10 pages does not matter.", () -> {
            SqueezedLines x = Make.withPages(10);
            edges.due("rawPagesLeft() with ten pages and the bound 300", x.rawPagesLeft(), 4);
            x.setBound(999);
            edges.due("rawPagesLeft() with ten pages and the bound 999", x.rawPagesLeft(), 15);
            edges.due("newPage()", x.newPage(), Edges.LIMIT);
            SqueezedLines empty = new SqueezedLines();
            empty.setBound(999);
            edges.due("rawPagesLeft() without pages: more than ten", empty.rawPagesLeft(), 15);
        });
        edges.of(23, "the number.", () -> {
            SqueezedLines x = Make.atBound();
            edges.due("rawPagesLeft() at the bound", x.rawPagesLeft(), 0);
            edges.due("rawPagesLeft() above the bound", Make.aboveBound().rawPagesLeft(), 0);
            SqueezedLines farAbove = Make.withPages(4);
            for (int page = 0; page < 4; page++) {
                Make.rawLines(farAbove, page, 0, 7);
            }
            farAbove.setBound(20);
            edges.due("rawPagesLeft() 240 units above the bound", farAbove.rawPagesLeft(), 0);
            farAbove.setBound(260 + 64);
            edges.due("rawPagesLeft() 64 units below the bound", farAbove.rawPagesLeft(), 0);
            farAbove.setBound(260 + 65);
            edges.due("rawPagesLeft() 65 units below the bound", farAbove.rawPagesLeft(), 1);
        });
    }
}
