/** The sentences of the promises 1 to 7: a new object, settings and pages. */
final class EdgesOfPages {
    private final Edges edges;

    EdgesOfPages(Edges edges) {
        this.edges = edges;
    }

    void run() {
        edges.of(1, "Creates a memory without pages.", this::newObject);
        setRoom();
        setBound();
        newPage();
        free();
        layAnew();
        layAllAnew();
    }

    private void undoable(int part, String name, Edges.Making making, Edges.Call call) {
        edges.of(part, "Undoable.", () -> edges.undoable(name, making, call));
    }

    // ---- promise 1

    private void newObject() {
        SqueezedLines x = new SqueezedLines();
        int[] counts = {0, 0, 300, 3, 0, 0, 0, 0, 0};
        for (int what = 0; what < counts.length; what++) {
            edges.due("count(" + what + ")", x.count(what), counts[what]);
        }
        for (int page = 0; page < 10; page++) {
            edges.due("page(" + page + ", 1)", x.page(page, 1), Edges.NO_SUCH);
        }
        for (int i = 0; i < 5; i++) {
            edges.due("lines(" + i + ")", x.lines(i), 0);
            edges.due("hint(" + i + ", 0)", x.hint(i, 0), i < 4 ? Edges.NONE : Edges.NO_SUCH);
        }
        edges.due("ifRoom(0)", x.ifRoom(0), 0);
        edges.due("loosest()", x.loosest(), Edges.NONE);
        edges.due("rawPagesLeft()", x.rawPagesLeft(), 4);
        edges.due("layAllAnew()", x.layAllAnew(), 0);
        edges.due("clearText()", x.clearText(), 0);
        edges.due("undo() of layAllAnew()", x.undo(), 0);
        edges.due("undo()", x.undo(), Edges.NOT_POSSIBLE);
    }

    // ---- promise 2

    private void setRoom() {
        edges.of(2, "Changes the room.", () -> {
            for (int room = 0; room <= 8; room++) {
                SqueezedLines x = new SqueezedLines();
                x.setRoom(room);
                edges.due("count(3) after setRoom(" + room + ")", x.count(3), room);
            }
        });
        edges.of(2, "Pages that have more lines beside than the new room tells are laid anew.", () -> {
            pagesBeyondRoom();
            tenPagesBeyondRoom();
        });
        undoable(2, "setRoom(0)", Make::lived, x -> x.setRoom(0));
        undoable(2, "setRoom() to the room that is", Make::lived, x -> x.setRoom(3));
        edges.of(2, "`room`: 0 to 8", () -> edges.range("setRoom", Make::lived, 0, 8, Edges.BAD_VALUE, SqueezedLines::setRoom));
        edges.of(2, "the previous room", () -> {
            SqueezedLines x = new SqueezedLines();
            edges.due("setRoom(8)", x.setRoom(8), 3);
            edges.due("setRoom(0)", x.setRoom(0), 8);
            edges.due("setRoom(0)", x.setRoom(0), 0);
            edges.due("setRoom(9)", x.setRoom(9), Edges.BAD_VALUE);
            edges.due("setRoom(1)", x.setRoom(1), 0);
        });
        edges.of(2, "BAD_VALUE if room is out of range", () -> {
            edges.refused("setRoom(9)", Make::lived, x -> x.setRoom(9), Edges.BAD_VALUE);
            edges.refused("setRoom(-1)", Make::lived, x -> x.setRoom(-1), Edges.BAD_VALUE);
            edges.refused("setRoom(9) above the bound", Make::aboveBound, x -> x.setRoom(9), Edges.BAD_VALUE);
            edges.refused("setRoom(-1) above the bound", Make::aboveBound, x -> x.setRoom(-1), Edges.BAD_VALUE);
        });
        edges.of(2, "LIMIT as told under Bound", this::roomAndBound);
    }

    /** Each number of lines beside, and each new room: laid anew with one line more than the room, not with as many. */
    private void pagesBeyondRoom() {
        for (int beside = 0; beside <= 8; beside++) {
            for (int room = 0; room <= 8; room++) {
                SqueezedLines x = Make.withSlot(0);
                Make.rawLines(x, 0, 0, beside - 1);
                x.newPage();
                x.fill(1, 0, 1);
                x.fill(1, 1, 1);
                int before = x.count(8);
                x.setRoom(room);
                String which = " with " + beside + " lines beside and setRoom(" + room + ")";
                edges.due("page(0, 0)" + which, x.page(0, 0), beside > room ? 8 : 0);
                edges.due("page(0, 2)" + which, x.page(0, 2), beside > room ? 0 : (1 << beside) - 1);
                edges.due("page(1, 0)" + which + ": only if it is beyond too", x.page(1, 0), room < 2 ? 1 : 0);
                edges.due("count(8)" + which, x.count(8) - before, (beside > room ? 1 : 0) + (room < 2 ? 1 : 0));
            }
        }
    }

    private void tenPagesBeyondRoom() {
        SqueezedLines x = Make.withPages(10);
        x.setBound(999);
        for (int page = 0; page < 10; page++) {
            Make.rawLines(x, page, 0, page % 2 == 0 ? 1 : 0);
        }
        x.setRoom(1);
        for (int page = 0; page < 10; page++) {
            edges.due("page(" + page + ", 0) after setRoom(1)", x.page(page, 0), page % 2 == 0 ? 8 : 0);
        }
        edges.due("count(8) after setRoom(1)", x.count(8), 5);
        x.setRoom(0);
        for (int page = 0; page < 10; page++) {
            edges.due("page(" + page + ", 0) after setRoom(0)", x.page(page, 0), 8);
        }
        edges.due("count(8) after setRoom(0)", x.count(8), 10);
    }

    private void roomAndBound() {
        Edges.Making making = () -> {
            SqueezedLines x = Make.withPages(3);
            Make.rawLines(x, 0, 0, 2);
            Make.rawLines(x, 1, 0, 2);
            Make.sameLines(x, 2, 0, 1);
            return x;
        };
        // 25 + 25 + 17: with room 2 the first two have 65 each, with room 1 the third has 9 too.
        edges.limit("setRoom(2)", making, 147, x -> x.setRoom(2));
        edges.limit("setRoom(1)", making, 139, x -> x.setRoom(1));
        for (int page = 0; page < 10; page++) {
            int number = page;
            edges.limit("setRoom(2) for page " + page, () -> {
                SqueezedLines x = Make.withPages(10);
                Make.rawLines(x, number, 0, 2);
                return x;
            }, 74, x -> x.setRoom(2));
        }
        SqueezedLines x = making.get();
        x.setBound(67);
        edges.due("setRoom(3): the same sum", x.setRoom(3), 3);
        edges.due("setRoom(8): the same sum", x.setRoom(8), 3);
        edges.due("setRoom(2)", x.setRoom(2), Edges.LIMIT);
        edges.due("count(3)", x.count(3), 8);
        SqueezedLines less = Make.withSlot(0);
        Make.sameLines(less, 0, 0, 7);
        less.setBound(20);
        edges.due("setRoom(7): a sum that becomes less", less.setRoom(7), 8);
        edges.due("count(1)", less.count(1), 9);
    }

    // ---- promise 3

    private void setBound() {
        edges.of(3, "Changes the bound.", () -> {
            SqueezedLines x = Make.withPages(2);
            x.setBound(20);
            edges.due("count(2)", x.count(2), 20);
            Make.rawLines(x, 0, 0, 1);
            edges.due("write(1, 0, 0, 5) above the new bound", x.write(1, 0, 0, 5), Edges.LIMIT);
            x.setBound(999);
            edges.due("count(2)", x.count(2), 999);
            edges.due("write(1, 0, 0, 5) below the new bound", x.write(1, 0, 0, 5), 2);
        });
        undoable(3, "setBound(20)", Make::lived, x -> x.setBound(20));
        undoable(3, "setBound() to the bound that is", Make::lived, x -> x.setBound(300));
        edges.of(3, "`bound`: 20 to 999", () -> edges.range("setBound", Make::lived, 20, 999, Edges.BAD_VALUE, SqueezedLines::setBound));
        edges.of(3, "the previous bound", () -> {
            SqueezedLines x = new SqueezedLines();
            edges.due("setBound(20)", x.setBound(20), 300);
            edges.due("setBound(19)", x.setBound(19), Edges.BAD_VALUE);
            edges.due("setBound(999)", x.setBound(999), 20);
            edges.due("setBound(999)", x.setBound(999), 999);
        });
        edges.of(3, "BAD_VALUE if bound is out of range", () -> {
            int[] wrong = {0, -1, -20, -300, 1001, 65536};
            for (int bound : wrong) {
                edges.refused("setBound(" + bound + ")", Make::lived, x -> x.setBound(bound), Edges.BAD_VALUE);
            }
        });
    }

    // ---- promise 4

    private void newPage() {
        edges.of(4, "Makes a new page.", () -> {
            SqueezedLines x = new SqueezedLines();
            for (int page = 0; page < 10; page++) {
                edges.due("page(" + page + ", 1)", x.page(page, 1), Edges.NO_SUCH);
                x.newPage();
                edges.due("page(" + page + ", 1) after newPage()", x.page(page, 1), 1);
                edges.due("count(0)", x.count(0), page + 1);
                edges.due("count(1)", x.count(1), page + 1);
            }
        });
        undoable(4, "newPage()", Make::lived, SqueezedLines::newPage);
        undoable(4, "newPage(), the first one", SqueezedLines::new, SqueezedLines::newPage);
        undoable(4, "newPage(), the tenth one", () -> Make.withPages(9), SqueezedLines::newPage);
        edges.of(4, "its number", () -> {
            edges.due("newPage() of a new object", new SqueezedLines().newPage(), 0);
            edges.due("newPage() with nine pages", Make.withPages(9).newPage(), 9);
            edges.due("newPage() without page 3", Make.lived().newPage(), 3);
        });
        edges.of(4, "LIMIT if there are 10 pages,", () -> {
            Edges.Making full = () -> {
                SqueezedLines x = Make.withPages(10);
                x.setBound(999);
                return x;
            };
            edges.refused("newPage() with ten pages", full, SqueezedLines::newPage, Edges.LIMIT);
            SqueezedLines x = full.get();
            x.free(0);
            edges.due("newPage() with nine pages", x.newPage(), 0);
        });
        edges.of(4, "or as told under Bound", () -> {
            edges.limit("newPage()", () -> {
                SqueezedLines x = Make.withPages(3);
                Make.rawLines(x, 0, 0, 2);
                return x;
            }, 28, SqueezedLines::newPage);
            edges.refused("newPage() at the bound 20", Make::atBound, SqueezedLines::newPage, Edges.LIMIT);
            edges.refused("newPage() above the bound", Make::aboveBound, SqueezedLines::newPage, Edges.LIMIT);
            SqueezedLines x = Make.atBound();
            x.fill(0, 0, 0);
            edges.due("newPage() with 8 units left", x.newPage(), 4);
        });
    }

    // ---- promise 5

    private void free() {
        edges.of(5, "Frees a page.", () -> {
            for (int page = 0; page < 10; page++) {
                SqueezedLines x = Make.withPages(10);
                x.fill(page, 0, 9);
                x.free(page);
                edges.due("page(" + page + ", 0)", x.page(page, 0), Edges.NO_SUCH);
                edges.due("peek(" + page + ", 0, 0)", x.peek(page, 0, 0), Edges.NO_SUCH);
                edges.due("count(0)", x.count(0), 9);
                edges.due("count(1)", x.count(1), 9);
                edges.due("count(4)", x.count(4), 0);
                edges.due("lines(0)", x.lines(0), 72);
                edges.due("lines(1)", x.lines(1), 0);
            }
            SqueezedLines x = Make.withPages(1);
            x.free(0);
            edges.due("count(0): the last page", x.count(0), 0);
            edges.due("newPage()", x.newPage(), 0);
        });
        undoable(5, "free(0)", Make::lived, x -> x.free(0));
        undoable(5, "free(4), which a hint has", Make::lived, x -> x.free(4));
        undoable(5, "free(0), the last page", () -> Make.withPages(1), x -> x.free(0));
        edges.of(5, "`page`: a page", () -> edges.pages("free", SqueezedLines::free));
        edges.of(5, "the number of units by which the sum of all sizes becomes less", () -> {
            SqueezedLines x = Make.lived();
            int[] pages = {0, 1, 2, 4};
            int[] sizes = {25, 65, 1, 1};
            for (int i = 0; i < pages.length; i++) {
                int before = x.count(1);
                edges.due("free(" + pages[i] + ")", x.free(pages[i]), sizes[i]);
                edges.due("the difference of count(1)", before - x.count(1), sizes[i]);
            }
            SqueezedLines greatest = Make.withSlot(4);
            Make.rawLines(greatest, 0, 0, 7);
            edges.due("free(0) of the greatest size", greatest.free(0), 97);
            edges.due("count(1)", greatest.count(1), 0);
        });
        edges.of(5, "NO_SUCH if there is no such page", () -> {
            edges.refused("free(3)", Make::lived, x -> x.free(3), Edges.NO_SUCH);
            edges.refused("free(5)", Make::lived, x -> x.free(5), Edges.NO_SUCH);
            edges.refused("free(0) after free(0)", () -> {
                SqueezedLines x = Make.withPages(1);
                x.free(0);
                return x;
            }, x -> x.free(0), Edges.NO_SUCH);
        });
    }

    // ---- promise 6

    private void layAnew() {
        edges.of(6, "Lays a page anew.", () -> {
            SqueezedLines x = Make.lived();
            Make.sameLines(x, 2, 0, 2);
            x.layAnew(1);
            edges.due("page(1, 0)", x.page(1, 0), 0);
            edges.due("page(1, 1)", x.page(1, 1), 9);
            edges.due("page(1, 2)", x.page(1, 2), 8);
            edges.due("page(2, 0): no other page", x.page(2, 0), 0);
            edges.due("page(2, 1): no other page", x.page(2, 1), 25);
            int before = x.count(8);
            x.layAnew(2);
            edges.due("page(2, 0)", x.page(2, 0), 1);
            edges.due("page(2, 1)", x.page(2, 1), 9);
            edges.due("count(8): that was not for too many lines beside", x.count(8), before);
        });
        edges.of(6, "Lays a page anew.", () -> {
            SqueezedLines atRoom = Make.withPages(1);
            Make.rawLines(atRoom, 0, 0, 2);
            atRoom.layAnew(0);
            edges.due("page(0, 0) with as many lines beside as the room tells", atRoom.page(0, 0), 0);
            edges.due("page(0, 2)", atRoom.page(0, 2), 7);
        });
        undoable(6, "layAnew(1)", Make::lived, x -> x.layAnew(1));
        undoable(6, "layAnew(4) that leaves the page as it is", Make::lived, x -> x.layAnew(4));
        edges.of(6, "`page`: a page", () -> edges.pages("layAnew", SqueezedLines::layAnew));
        edges.of(6, "the previous slot size", () -> {
            for (int slot : new int[] {0, 1, 3, 4, 8}) {
                SqueezedLines x = Make.withSlot(slot);
                edges.due("layAnew(0) with slot " + slot, x.layAnew(0), slot);
                edges.due("layAnew(0) again", x.layAnew(0), 0);
            }
        });
        edges.of(6, "NO_SUCH if there is no such page", () -> {
            edges.refused("layAnew(3)", Make::lived, x -> x.layAnew(3), Edges.NO_SUCH);
            edges.refused("layAnew(5)", Make::lived, x -> x.layAnew(5), Edges.NO_SUCH);
        });
    }

    // ---- promise 7

    /** Ten pages whose slots have 8, with zeros: 650. */
    private static SqueezedLines tenLoosePages() {
        SqueezedLines x = Make.withPages(10);
        x.setBound(999);
        x.setRoom(0);
        for (int page = 0; page < 10; page++) {
            x.write(page, 0, 0, 1000);
            x.fill(page, 0, 0);
        }
        x.setRoom(3);
        return x;
    }

    private void layAllAnew() {
        edges.of(7, "Lays all pages anew.", () -> {
            SqueezedLines x = tenLoosePages();
            int before = x.count(8);
            edges.due("layAllAnew() of ten pages", x.layAllAnew(), 640);
            for (int page = 0; page < 10; page++) {
                edges.due("page(" + page + ", 0)", x.page(page, 0), 0);
            }
            edges.due("count(1)", x.count(1), 10);
            edges.due("count(8): that was not for too many lines beside", x.count(8), before);
            SqueezedLines lived = Make.lived();
            Make.sameLines(lived, 4, 0, 2);
            lived.layAllAnew();
            edges.due("page(1, 0)", lived.page(1, 0), 0);
            edges.due("page(4, 0)", lived.page(4, 0), 1);
            edges.due("page(3, 0): there is none", lived.page(3, 0), Edges.NO_SUCH);
        });
        undoable(7, "layAllAnew()", Make::lived, SqueezedLines::layAllAnew);
        undoable(7, "layAllAnew() without pages", SqueezedLines::new, SqueezedLines::layAllAnew);
        edges.of(7, "the number of units by which the sum of all sizes becomes less.", () -> {
            edges.due("layAllAnew() without pages", new SqueezedLines().layAllAnew(), 0);
            edges.due("layAllAnew() where no page becomes less", Make.withPages(10).layAllAnew(), 0);
            SqueezedLines x = Make.lived();
            int before = x.count(1);
            edges.due("layAllAnew()", x.layAllAnew(), 56);
            edges.due("the difference of count(1)", before - x.count(1), 56);
            edges.due("layAllAnew() again", x.layAllAnew(), 0);
        });
    }
}
